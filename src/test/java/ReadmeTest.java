/** The example of README.md answers what README.md says. */
final class ReadmeTest {
  public static void main(String[] args) {
    WatershedMap map = new WatershedMap();
    map.tilt(20, 15, 8);
    map.hill(3, 8, 3, -250);
    Due.is("lakes", map.lakes(), 14);
    Due.is("deep", map.level(3, 8) - map.height(3, 8), 111);
    Due.is("seen", map.sees(0, 0, 5, 11, 11), false);
    Due.is("end", map.water(11, 11, 2), 4 * 12 + 5);
    Due.end();
  }
}
