import java.io.IOException;
import java.nio.file.Files;
import java.nio.file.Path;
import java.util.regex.Matcher;
import java.util.regex.Pattern;

/** README.md: its example answers what it says, and each call of the face stands in it. */
public final class ReadmeTests {
    private static int wrong;

    public static void main(String[] args) throws IOException {
        example();
        String readme = Files.readString(Path.of("README.md"));
        exampleIsThisOne(readme, Files.readString(Path.of("src/test/java/ReadmeTests.java")));
        calls(readme);
        System.out.println(wrong + " wrong");
        if (wrong != 0) {
            System.exit(1);
        }
    }

    private static void example() {
        ShardRing ring = new ShardRing(2, 4);
        due("the key is new", ring.put(17, 100), 1);
        due("node 0 has it", ring.home(17), 0);
        due("so many keys are to move", ring.join(2, 4), 1);
        due("and will be node 2's", ring.owner(17), 2);
        due("node 0 has it still", ring.home(17), 0);
        int[] answers = {ShardRing.COPIED, ShardRing.FLIPPED, ShardRing.GONE, ShardRing.OTHER};
        int steps = 0;
        while (ring.count(1) != ShardRing.NONE && steps < answers.length) {
            due("step " + steps, ring.step(), answers[steps]);
            steps++;
        }
        due("so many steps", steps, answers.length);
        due("as before", ring.get(17), 100);
        due("node 2 has it now", ring.home(17), 2);
        ring.fail(0);
        due("FAILED", ring.put(17, 101), ShardRing.FAILED);
        due("the power is off", ring.off() ? 1 : 0, 1);
        due("NONE: there is no plan", ring.recover(), ShardRing.NONE);
        due("as was written", ring.get(17), 100);
    }

    /** The calls in the README's example are those of this test, in their order. */
    private static void exampleIsThisOne(String readme, String test) {
        Matcher block = Pattern.compile("```java\n(.*?)```", Pattern.DOTALL).matcher(readme);
        if (!block.find()) {
            wrong("no example");
            return;
        }
        Matcher call = Pattern.compile("(new ShardRing|ring\\.[a-z]+)\\([^)]*\\)").matcher(block.group(1));
        int at = 0;
        while (call.find()) {
            int next = test.indexOf(call.group(), at);
            if (next < 0) {
                wrong("not tried here, or in another order: " + call.group());
                return;
            }
            at = next + call.group().length();
        }
        if (at == 0) {
            wrong("no call in the example");
        }
    }

    private static void calls(String readme) {
        for (java.lang.reflect.Method method : ShardRing.class.getDeclaredMethods()) {
            boolean open = java.lang.reflect.Modifier.isPublic(method.getModifiers());
            if (open && !readme.contains("| `" + method.getName() + "(")) {
                wrong("not in the README's table: " + method.getName());
            }
        }
    }

    private static void due(String what, int got, int want) {
        if (got != want) {
            wrong(what + ": " + got + ", due is " + want);
        }
    }

    private static void wrong(String what) {
        wrong++;
        System.out.println("wrong: " + what);
    }
}
