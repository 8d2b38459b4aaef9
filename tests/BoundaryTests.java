import java.lang.reflect.Method;
import java.lang.reflect.Modifier;

/**
 * Each sentence of the document that names a boundary case, by a test of its own, which quotes the sentence. The
 * document is read along: a quotation that it does not have fails, and so does what no test quotes.
 */
public final class BoundaryTests {
    public static void main(String[] args) throws Exception {
        Doc doc = new Doc();
        Edge.begin(doc);
        face(doc);
        calls();
        EdgesOfTerms.all();
        EdgesOfSpaces.all();
        EdgesOfReductions.all();
        EdgesOfMaps.all();
        EdgesOfChains.all();
        EdgesOfTexts.all();
        EdgesOfSheets.all();
        EdgesOfShelves.all();
        Edge.end();
    }

    /** Each promise's signature stands in the face and in the class, and the class has no more. */
    private static void face(Doc doc) throws Exception {
        Edge.quote("The public face", "public static final int BAD = -1, FULL = -2, NONE = -3;");
        Edge.check("BAD", NestedPoints.BAD, -1);
        Edge.check("FULL", NestedPoints.FULL, -2);
        Edge.check("NONE", NestedPoints.NONE, -3);
        Edge.check("promises", doc.promises(), 47);
        int calls = 0;
        for (Method m : NestedPoints.class.getDeclaredMethods()) {
            calls += Modifier.isPublic(m.getModifiers()) ? 1 : 0;
        }
        Edge.check("public methods", calls, 46);
        Edge.check("public fields", NestedPoints.class.getFields().length, 3);
        Edge.check("public constructors", NestedPoints.class.getConstructors().length, 1);
        Edge.check("the constructor", doc.signature(1), "NestedPoints()");
        for (int promise = 2; promise <= doc.promises(); promise++) {
            String signature = doc.signature(promise);
            Edge.quote("The public face", "public " + signature + ";");
            Edge.check("the class's own", own(signature), signature);
        }
    }

    /** The signature of the class's method of that name and as many parameters, named as the document names them. */
    private static String own(String signature) throws Exception {
        String name = signature.substring(signature.indexOf(' ') + 1, signature.indexOf('('));
        String inside = signature.substring(signature.indexOf('(') + 1, signature.indexOf(')'));
        String[] told = inside.isEmpty() ? new String[0] : inside.split(", ");
        for (Method m : NestedPoints.class.getMethods()) {
            if (m.getName().equals(name) && m.getParameterCount() == told.length) {
                StringBuilder out = new StringBuilder(m.getReturnType().getName()).append(' ').append(name).append('(');
                for (int i = 0; i < told.length; i++) {
                    String word = told[i].substring(told[i].indexOf(' '));
                    out.append(i == 0 ? "" : ", ").append(m.getParameterTypes()[i].getName()).append(word);
                }
                return out.append(')').toString();
            }
        }
        return "missing";
    }

    /** The last of the calls that are promised answers as the first ones do, whatever was called. */
    private static void calls() {
        Edge.quote("What it is", "An object is used for at most 512 calls after it has been made; what later calls answer is free.");
        String[] dear = {"ways(0, 4, 3)", "ways(1, 3, 0)", "same(2, 2, -1)", "list(4, 2)", "listed(4, 1, 15, 1)", "fence(3, 2, 0, 511)",
            "holes(4, 5)", "retract(0)", "homotopic(0, 1)", "maps(5, 0)", "form(5)", "ways(0, 1, 0)", "retract(2)"};
        int[] due = {1, 40320, 40320, 33, 24, Edge.NONE, 0, (1 << 24) - 1, 1, 792, 36079, 5040, 076543210};
        Subject x = new Subject();
        String[] build = {"points(0, 8)", "points(1, 8)", "points(2, 8)", "points(3, 3)", "points(4, 7)", "points(5, 5)"};
        for (String call : build) {
            x.ask(call);
        }
        for (int i = 1; i < 8; i++) {
            x.ask("nest(0, " + i + ", " + (i - 1) + ")");
            x.ask("nest(1, " + i + ", " + (i - 1) + ")");
            x.ask("nest(1, " + (i - 1) + ", " + i + ")");
            x.ask("nest(4, " + i + ", " + (i - 1) + ")");
            x.ask("nest(5, " + i + ", " + (i - 1) + ")");
        }
        while (x.calls() < Subject.CALLS) {
            int i = x.calls() % dear.length;
            Edge.check("call " + (x.calls() + 1) + ", " + dear[i], x.ask(dear[i]), due[i]);
        }
    }
}
