import java.io.IOException;
import java.lang.reflect.Constructor;
import java.lang.reflect.Executable;
import java.lang.reflect.Field;
import java.lang.reflect.Method;
import java.lang.reflect.Modifier;
import java.nio.file.Files;
import java.nio.file.Path;
import java.util.Set;
import java.util.TreeSet;

/** The class has the document's public face, and keeps to what LANGUAGE.md says that can be seen from outside. */
final class FaceTest extends Checks {
  private static final Path SOURCE = Path.of("src/main/java/SheetKernel.java");
  private static final Path DOCUMENT = Path.of("../shared/DOC.md");

  private static final String[] FORBIDDEN = {
    "import ", "package ", "catch", "finally", "synchronized", "assert ", "->", "::", "Exact(", "System.", "Thread"
  };

  public static void main(String[] args) {
    test("public and final", FaceTest::publicAndFinal);
    test("every constant, constructor and method of the face, and no other", FaceTest::sameFace);
    test("NONE = -1", FaceTest::none);
    test("no member that is protected or package-visible", FaceTest::hiddenMembers);
    test("no private method bears the name of a public one", FaceTest::ownNames);
    test("classes inside are static and not public", FaceTest::classesInside);
    test("static fields are final", FaceTest::staticFields);
    test("at most seven parameters", FaceTest::fewParameters);
    test("what the source does without", FaceTest::forbidden);
    finish();
  }

  private static void publicAndFinal() {
    int modifiers = SheetKernel.class.getModifiers();
    due("public", modifiers & Modifier.PUBLIC, Modifier.PUBLIC);
    due("final", modifiers & Modifier.FINAL, Modifier.FINAL);
  }

  private static void sameFace() {
    Set<String> due = faceOfDocument();
    Set<String> got = faceOfClass();
    for (String line : due) due(line + " is there", got.contains(line) ? 1 : 0, 1);
    for (String line : got) due(line + " is in the document", due.contains(line) ? 1 : 0, 1);
    due("members of the face", got.size(), 21);
  }

  private static void none() {
    due("NONE", SheetKernel.NONE, -1);
  }

  private static void hiddenMembers() {
    for (Field field : SheetKernel.class.getDeclaredFields()) dueHiddenOrPublic(field.getName(), field.getModifiers());
    for (Method method : SheetKernel.class.getDeclaredMethods()) {
      if (!method.isSynthetic()) dueHiddenOrPublic(method.getName(), method.getModifiers());
    }
  }

  private static void dueHiddenOrPublic(String name, int modifiers) {
    due(name + " is public or private", Modifier.isPublic(modifiers) || Modifier.isPrivate(modifiers) ? 1 : 0, 1);
  }

  private static void ownNames() {
    Set<String> open = new TreeSet<>();
    for (Method method : SheetKernel.class.getMethods()) open.add(method.getName());
    dueOtherNames(SheetKernel.class, open);
    for (Class<?> inside : SheetKernel.class.getDeclaredClasses()) dueOtherNames(inside, open);
  }

  private static void dueOtherNames(Class<?> where, Set<String> open) {
    for (Method method : where.getDeclaredMethods()) {
      if (Modifier.isPublic(method.getModifiers()) || method.isSynthetic()) continue;
      due(where.getSimpleName() + "." + method.getName() + " is a public one's name",
          open.contains(method.getName()) ? 1 : 0, 0);
    }
  }

  private static void classesInside() {
    Class<?>[] inside = SheetKernel.class.getDeclaredClasses();
    due("at most twelve classes", inside.length <= 12 ? 1 : 0, 1);
    for (Class<?> one : inside) {
      due(one.getSimpleName() + " is static", Modifier.isStatic(one.getModifiers()) ? 1 : 0, 1);
      due(one.getSimpleName() + " is public", Modifier.isPublic(one.getModifiers()) ? 1 : 0, 0);
    }
  }

  private static void staticFields() {
    dueFinalStatics(SheetKernel.class);
    for (Class<?> inside : SheetKernel.class.getDeclaredClasses()) dueFinalStatics(inside);
  }

  private static void dueFinalStatics(Class<?> where) {
    for (Field field : where.getDeclaredFields()) {
      int modifiers = field.getModifiers();
      if (Modifier.isStatic(modifiers)) due(field.getName() + " is final", Modifier.isFinal(modifiers) ? 1 : 0, 1);
    }
  }

  private static void fewParameters() {
    dueFewParameters(SheetKernel.class);
    for (Class<?> inside : SheetKernel.class.getDeclaredClasses()) dueFewParameters(inside);
  }

  private static void dueFewParameters(Class<?> where) {
    for (Method method : where.getDeclaredMethods()) {
      due(method.getName() + " takes few", method.getParameterCount() <= 7 ? 1 : 0, 1);
    }
  }

  private static void forbidden() {
    String source = textOf(SOURCE);
    for (String word : FORBIDDEN) due("'" + word + "' in the source", source.contains(word) ? 1 : 0, 0);
  }

  // ---- faces as lines of text, without the parameters' names

  private static Set<String> faceOfClass() {
    Set<String> face = new TreeSet<>();
    for (Field field : SheetKernel.class.getFields()) {
      face.add(Modifier.toString(field.getModifiers()) + " " + field.getType().getSimpleName() + " " + field.getName());
    }
    for (Constructor<?> made : SheetKernel.class.getConstructors()) {
      face.add("public SheetKernel" + takenAndThrown(made));
    }
    for (Method method : SheetKernel.class.getDeclaredMethods()) {
      if (!Modifier.isPublic(method.getModifiers())) continue;
      face.add(Modifier.toString(method.getModifiers()) + " " + method.getReturnType().getSimpleName()
          + " " + method.getName() + takenAndThrown(method));
    }
    return face;
  }

  private static String takenAndThrown(Executable call) {
    StringBuilder text = new StringBuilder("(");
    for (Class<?> type : call.getParameterTypes()) {
      text.append(text.length() > 1 ? ", " : "").append(type.getSimpleName());
    }
    text.append(")");
    String between = " throws ";
    for (Class<?> type : call.getExceptionTypes()) {
      text.append(between).append(type.getSimpleName());
      between = ", ";
    }
    return text.toString();
  }

  private static Set<String> faceOfDocument() {
    String text = textOf(DOCUMENT);
    int from = text.indexOf("```java\n");
    int to = from < 0 ? -1 : text.indexOf("\n```\n", from);
    Set<String> face = new TreeSet<>();
    if (to < 0) return face;
    for (String line : text.substring(from, to).split("\n")) {
      if (line.startsWith("    public ")) {
        face.add(line.trim().replaceAll(" = .*|;", "").replaceAll("(int|boolean) \\w+(?=[,)])", "$1"));
      }
    }
    return face;
  }

  private static String textOf(Path file) {
    try {
      return Files.readString(file);
    } catch (IOException e) {
      throw new IllegalStateException(file + " can't be read");
    }
  }
}
