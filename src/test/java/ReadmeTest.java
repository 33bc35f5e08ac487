/** The calls that README.md shows answer what it says. */
final class ReadmeTest extends Checks {
  public static void main(String[] args) {
    test("README.md", ReadmeTest::shown);
    finish();
  }

  private static void shown() {
    SheetKernel kernel = new SheetKernel();
    int parent = kernel.spawn();
    due("parent", parent, 0);
    kernel.area(parent, 0, 1, 2);
    kernel.area(parent, 1, 4, 0);
    kernel.write(parent, 9, 77);
    int child = kernel.fork(parent);
    due("child", child, 1);
    kernel.write(child, 9, 78);
    due("the parent's word", kernel.read(parent, 9), 77);
    due("the copy's frame", kernel.page(child, 1, 2), 1);
    kernel.load(child, 0, 0x01000005);
    kernel.load(child, 1, 0x03000004);
    kernel.load(child, 2, 0x00000000);
    due("two steps", kernel.run(child, 2), 2);
    due("the child's word", kernel.read(child, 9), 5);
    due("the last step", kernel.run(child, 100), 1);
    due("its reason", kernel.about(child, 0), 4);
  }
}
