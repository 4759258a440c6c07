import java.io.File;
import java.io.IOException;
import java.lang.reflect.Method;
import java.lang.reflect.Modifier;
import java.lang.reflect.Parameter;
import java.nio.file.Files;
import java.nio.file.Path;
import java.util.List;

/** README.md: its example answers as it says there, and it leaves out no call of the class and no test. */
public final class ReadmeTest {
    public static void main(String[] args) throws IOException {
        String readme = Files.readString(Path.of("README.md"));
        exampleAnswers();
        exampleIsTheOneHere(readme);
        eachCallIsTold(readme);
        eachTestIsTold(readme);
        Check.finish();
    }

    private static void exampleAnswers() {
        ArtifactBags bags = new ArtifactBags();
        Check.due("raw(6647407, 3)", bags.raw(6647407L, 3), 3);
        int file = bags.put(0);
        Check.due("put(0) of the file", file, Texts.digest("one"));
        Check.due("card(0, 5, 0)", bags.card(0, 5, 0), 4);
        Check.due("card(1, 1, file)", bags.card(1, 1, file), 15);
        Check.due("card(4, files(0), 0)", bags.card(4, bags.files(0), 0), 24);
        Check.due("card(6, 0, 0)", bags.card(6, 0, 0), 33);
        int checkIn = bags.put(0);
        Check.due("kind of the manifest", bags.kind(0, checkIn), 1);
        Check.due("checkIns(0)", bags.checkIns(0), 1);
        Check.due("round(10000)", bags.round(10000), 0);
        Check.due("round(10000), 2nd", bags.round(10000), 2);
        Check.due("timeline(1, 0)", bags.timeline(1, 0), checkIn);
    }

    private static void exampleIsTheOneHere(String readme) {
        List<String> lines = List.of("ArtifactBags bags = new ArtifactBags();", "bags.raw(6647407L, 3); // 3:",
                "int file = bags.put(0);", "bags.card(0, 5, 0); // 4:", "bags.card(1, 1, file); // 15:",
                "bags.card(4, bags.files(0), 0); // 24:", "bags.card(6, 0, 0); // 33:", "int checkIn = bags.put(0);",
                "bags.checkIns(0); // 1", "bags.round(10000); // 0:", "bags.round(10000); // 2:",
                "bags.timeline(1, 0) == checkIn; // true");
        int start = readme.indexOf("```java\n") + 8;
        String[] example = readme.substring(start, readme.indexOf("```", start)).split("\n");
        Check.due("the example's lines", example.length, lines.size());
        for (int i = 0; i < lines.size() && i < example.length; i++) {
            Check.due("whether line " + i + " is " + lines.get(i), example[i].replaceAll(" +", " ").startsWith(lines.get(i)), true);
        }
    }

    private static void eachCallIsTold(String readme) {
        for (Method method : ArtifactBags.class.getDeclaredMethods()) {
            if (Modifier.isPublic(method.getModifiers())) {
                String start = "| `" + method.getReturnType().getSimpleName() + " " + method.getName() + "(";
                int at = readme.indexOf(start);
                Check.due("whether README.md has " + start, at >= 0, true);
                String parameters = at < 0 ? "" : readme.substring(at + start.length(), readme.indexOf(")", at));
                Check.due("whether the parameters of " + method.getName() + " are " + parameters, fits(method, parameters), true);
            }
        }
    }

    private static boolean fits(Method method, String text) {
        Parameter[] parameters = method.getParameters();
        String[] words = text.isEmpty() ? new String[0] : text.split(", ");
        boolean fits = words.length == parameters.length;
        for (int i = 0; fits && i < words.length; i++) {
            fits = words[i].startsWith(parameters[i].getType().getSimpleName() + " ");
        }
        return fits;
    }

    private static void eachTestIsTold(String readme) {
        String[] files = new File("src/test/java").list();
        Check.due("whether there are tests", files != null && files.length > 0, true);
        for (String file : files == null ? new String[0] : files) {
            if (file.endsWith("Test.java")) {
                String test = file.substring(0, file.length() - 5);
                Check.due("whether README.md tells of " + test, readme.contains("| " + test + " |") || readme.contains("\n" + test + " "), true);
            }
        }
    }
}
