/** The example of README.md, with the answers that it tells. */
public final class ReadmeTest {
    private static int wrong = 0;

    private static void due(String call, int got, int want) {
        if (got != want) {
            wrong++;
            System.out.println(call + " answered " + got + ", README.md says " + want);
        }
    }

    public static void main(String[] args) {
        HosieryPlant plant = new HosieryPlant();
        type(plant, "yarn wool 20 10;shape last 2400;size m 2200 2300;piece wool plain 2000 100 times 2;");
        due("load()", plant.load(), 2);
        due("boardAll(0)", plant.boardAll(0), 2);
        due("length(0)", plant.length(0), 2240);
        due("pair(0)", plant.pair(0), 1);
        due("day()", plant.day(), 2);
        due("length(0)", plant.length(0), 2216);
        due("undo()", plant.undo(), 2);
        System.exit(wrong == 0 ? 0 : 1);
    }

    private static void type(HosieryPlant plant, String text) {
        for (int i = 0; i < text.length(); i += 20) {
            int[] numbers = new int[5];
            for (int j = 0; j < 20; j++) {
                int sign = i + j < text.length() ? text.charAt(i + j) : ' ';
                numbers[j / 4] = numbers[j / 4] << 8 | sign;
            }
            plant.append(numbers[0], numbers[1], numbers[2], numbers[3], numbers[4]);
        }
        plant.truncate(text.length());
    }
}
