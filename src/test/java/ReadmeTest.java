import java.io.IOException;
import java.lang.reflect.Field;
import java.lang.reflect.Method;
import java.lang.reflect.Modifier;
import java.nio.file.Files;
import java.nio.file.Path;
import java.util.ArrayList;
import java.util.List;

/**
 * The examples of README.md: each of their lines stands here too, so that it is compiled and run. It
 * is run from the folder of README.md.
 */
public final class ReadmeTest {
    private static final Path README = Path.of("README.md");
    private static final Path THIS = Path.of("src", "test", "java", "ReadmeTest.java");

    public static void main(String[] args) throws IOException {
        Check check = new Check();
        oneCall(check);
        aGrainThatCallsAnother(check);
        everyLineOfTheExamplesIsRun(check);
        everyNameIsTold(check);
        check.finish();
    }

    private static void oneCall(Check check) {
        GrainHost host = new GrainHost();
        host.step(0, 0, 0, 5, 0);        // method 0 of kind 0: ADD 5
        host.step(0, 0, 1, 0, 0);        //                     TAKE
        int c = host.call(3, 0, 2);      // an outside call: grain 3, method 0, arg 2
        host.run(40);                    // up to 40 turns
        long result = host.ask(c, 1);    // 7
        check.due("the result", result, 7);
    }

    private static void aGrainThatCallsAnother(Check check) {
        GrainHost host = new GrainHost();
        host.kind(1, false, true);       // kind 1, grains 8..15: not reentrant, but kept in the store
        host.step(0, 0, 3, 8, 0);        // method 0 of kind 0: CALL grain 8, method 0
        host.step(0, 0, 11, 0, 0);       //                     CATCH: if that fails, R is -code
        host.step(0, 0, 2, 0, 0);        //                     KEEP: the state grows by R
        host.step(1, 0, 0, 10, 0);       // method 0 of kind 1: ADD 10
        host.step(1, 0, 5, 0, 0);        //                     SAVE
        host.limits(5, 3);               // late after 5 ticks; a grain goes when it is idle for 3
        int first = host.call(0, 0, 0);
        host.run(40);
        long sum = host.ask(first, 1);   // 10
        host.fails(1);
        int second = host.call(0, 0, 0);
        host.run(40);                    // grain 8 can't save: BROKEN, which grain 0 catches
        check.due("grain 0 goes on behind CATCH, so its call", host.ask(second, 0), 1);
        long less = host.ask(second, 1); // 10 - 101 = -91
        host.tick(3);                    // both grains go; that of the kept kind is stored
        int here = host.count(4);        // 0
        int stored = host.grain(8, 6);   // 20
        int forgotten = host.forget();   // 2: there is room for 12 outside calls again
        check.due("the sum", sum, 10);
        check.due("what is less", less, -91);
        check.due("grains here", here, 0);
        check.due("stored", stored, 20);
        check.due("forgotten", forgotten, 2);
    }

    private static void everyLineOfTheExamplesIsRun(Check check) throws IOException {
        List<String> lines = exampleLines();
        check.due("README.md has examples", lines.size() > 0, true);
        List<String> run = Files.readAllLines(THIS);
        int at = 0;
        for (String line : lines) {
            int found = at;
            while (found < run.size() && !run.get(found).strip().equals(line)) {
                found++;
            }
            check.due("that this line of README.md is run: " + line, found < run.size(), true);
            at = found < run.size() ? found + 1 : at;
        }
    }

    private static List<String> exampleLines() throws IOException {
        List<String> lines = new ArrayList<>();
        boolean inside = false;
        for (String line : Files.readAllLines(README)) {
            if (line.startsWith("```")) {
                inside = line.equals("```java");
            } else if (inside) {
                lines.add(line.strip());
            }
        }
        return lines;
    }

    private static void everyNameIsTold(Check check) throws IOException {
        String readme = Files.readString(README);
        for (Method m : GrainHost.class.getDeclaredMethods()) {
            if (Modifier.isPublic(m.getModifiers())) {
                check.due("that README.md tells of " + m.getName(), readme.contains("`" + m.getName() + "("), true);
            }
        }
        for (Field f : GrainHost.class.getDeclaredFields()) {
            if (Modifier.isPublic(f.getModifiers())) {
                check.due("that README.md tells of " + f.getName(), readme.contains("`" + f.getName() + "`"), true);
            }
        }
        check.due("that README.md tells how the tests are run", readme.contains(".ci/run"), true);
    }
}
