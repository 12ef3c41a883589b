import com.sun.source.tree.Tree;
import java.io.IOException;
import java.util.Set;
import java.util.TreeSet;

/** What the compiler's tree of the program shows of LANGUAGE.md's rules 2, 4, 6, 8, 10, 11 and 12. */
public final class TreeTest {
    private static final int DEEPEST = 8;
    private static final Set<Tree.Kind> RULED_OUT = Set.of(Tree.Kind.THROW, Tree.Kind.TRY, Tree.Kind.CATCH, Tree.Kind.SYNCHRONIZED,
        Tree.Kind.ASSERT, Tree.Kind.LAMBDA_EXPRESSION, Tree.Kind.MEMBER_REFERENCE, Tree.Kind.IMPORT, Tree.Kind.PACKAGE,
        Tree.Kind.DOUBLE_LITERAL, Tree.Kind.FLOAT_LITERAL, Tree.Kind.SWITCH_EXPRESSION, Tree.Kind.ANNOTATION);
    private static final Set<String> LIBRARY = Set.of("String.length", "String.charAt", "String.indexOf", "Math.max", "Math.min",
        "System.arraycopy");
    // Each of these begins a RUN for every round, so that LIMIT bounds how deep they go.
    private static final Set<String> PLACES = Set.of("Teller.askPlace(int,int)", "Teller.tellPlace(int,int)",
        "Teller.seekPlace(int,int)", "Teller.mergePlace(int,int)");
    private static final Set<String> HEADS = Set.of("Teller.askHead(int,int)", "Teller.tellHead(int,int)");
    private static int wrong = 0;

    public static void main(String[] args) throws IOException {
        Program program = Program.read();
        rule(program.publicOnes.size() == 30, "the face has a constructor and 29 methods");
        for (String method : program.publicOnes) {
            rule(program.depth(method) <= DEEPEST, "calls go at most eight deep: " + method + " goes " + program.depth(method));
        }
        recursion(program);
        Set<Tree.Kind> odd = new TreeSet<>(program.kinds);
        odd.retainAll(RULED_OUT);
        rule(odd.isEmpty(), "none of these: " + odd);
        Set<String> others = new TreeSet<>(program.library);
        others.removeAll(LIBRARY);
        rule(others.isEmpty(), "only what the program needs of the library: " + others);
        rule(program.makers.isEmpty(), "objects are made in constructors alone: " + program.makers);
        rule(program.oddOperators.isEmpty(), "operators between numbers alone: " + program.oddOperators);
        System.out.println(wrong == 0 ? "the program's tree is within the rules" : wrong + " rules are broken");
        if (wrong != 0) System.exit(1);
    }

    private static void recursion(Program program) {
        for (String method : program.calls.keySet()) {
            Set<String> ring = program.ring(method);
            boolean recursive = ring.size() > 1 || program.calls.get(method).contains(method);
            if (!recursive) continue;
            rule(ring.equals(PLACES) || ring.equals(HEADS), "only asking is recursive: " + ring);
            rule(program.privateOnes.contains(method), "what is recursive is private: " + method);
        }
    }

    private static void rule(boolean kept, String what) {
        if (kept) return;
        wrong++;
        System.out.println("not kept: " + what);
    }
}
