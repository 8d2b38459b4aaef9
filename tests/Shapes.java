/** Spaces that many tests use, told in texts. */
final class Shapes {
    /** 0 below 1 and 2. */
    static final String VEE = "3;1>0;2>0";
    static final String CHAIN2 = "2;1>0";
    static final String CHAIN3 = "3;1>0;2>1";
    /** 0 below 1 below .. below 7. */
    static final String CHAIN8 = "8;1>0;2>1;3>2;4>3;5>4;6>5;7>6";
    /** 0 above 1 above .. above 7. */
    static final String DOWN8 = "8;0>1;1>2;2>3;3>4;4>5;5>6;6>7";
    static final String CHAIN7 = "7;1>0;2>1;3>2;4>3;5>4;6>5";
    /** 0 and 1 below 2 and 3. */
    static final String CIRCLE = "4;2>0,1;3>0,1";
    /** Three rows of two, each below all of the next. */
    static final String SPHERE = "6;2>0,1;3>0,1;4>2,3;5>2,3";
    static final String TWINS = "2;0=1";
    static final String ALIKE8 = "8;0=1;1=2;2=3;3=4;4=5;5=6;6=7";
    /** 0 below 1 above 2 below 3 above .. 7. */
    static final String ZIGZAG8 = "8;1>0,2;3>2,4;5>4,6;7>6";
    /** Each of four below each of four. */
    static final String FOUR_FOUR = "8;4>0,1,2,3;5>0,1,2,3;6>0,1,2,3;7>0,1,2,3";

    private Shapes() {
    }
}
