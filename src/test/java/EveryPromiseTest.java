import java.lang.reflect.Method;
import java.util.TreeSet;

/** Each of the promises 1 to 38 has tests of its edges. */
public final class EveryPromiseTest {
    public static void main(String[] args) throws ClassNotFoundException {
        Checks.part("promises with tests of their edges");
        TreeSet<Integer> found = new TreeSet<>();
        int tests = 0;
        for (String name : new String[] {"LandEdgesTest", "QuarrelEdgesTest", "SearchEdgesTest", "ReportEdgesTest"}) {
            for (Method m : Edges.testsOf(Class.forName(name))) {
                found.add(Integer.parseInt(m.getName().substring(7, 9)));
                tests++;
            }
        }
        for (int promise = 1; promise <= 38; promise++) {
            Checks.due("promise " + promise + " has tests", found.contains(promise), true);
        }
        System.out.println(tests + " tests of edges");
        Checks.close();
    }
}
