import java.nio.ByteBuffer;
import java.nio.charset.StandardCharsets;
import java.util.Arrays;

public final class Example {
    /** Brings a text onto THE TAPE, twenty bytes a call, and makes it the REGATTA. */
    static int tell(RoofRegatta x, String text) {
        byte[] bytes = text.getBytes(StandardCharsets.US_ASCII);
        ByteBuffer fed = ByteBuffer.wrap(Arrays.copyOf(bytes, (bytes.length + 19) / 20 * 20));
        while (fed.hasRemaining()) {
            x.feed(fed.getInt(), fed.getInt(), fed.getInt(), fed.getInt(), fed.getInt());
        }
        return x.regatta(bytes.length);
    }

    public static void main(String[] args) {
        RoofRegatta x = new RoofRegatta();
        int houses = tell(x, "regatta water 10 bridge 2 storey 5 rain 50 by 5;"
            + "bend oxbow long 10 left; bend ferry long 8 right;"
            + "house inn pub left tiles 20 storeys 2; house row terrace right tiles 20 storeys 3;"
            + "lodger ann weighs 5 rows 3; lodger bob weighs 7 rows 6; friend ann bob; aboard ann row;"
            + "prize 50; prize 20; saw row inn ferry");
        System.out.println("houses " + houses);
        System.out.println("totals " + x.total(0) + " and " + x.total(1) + ", first is house " + x.ranked(0));
        System.out.println("the mean of house 1 by rain: " + x.mean(1, false) + " by " + x.mean(1, true));
        System.out.println("house 1 at best: rank " + x.bestRank(1) + ", lodger 1 in house " + x.loadOf(1, 1));
        System.out.println("lodger 1 boards house 1, aboard are then " + x.board(1, 1));
        System.out.println("totals " + x.total(0) + " and " + x.total(1) + ", first is house " + x.ranked(0));
        System.out.println("undone " + x.undo() + ", lodger ashore " + x.led(0));
        System.out.println("house 2 has total " + x.total(2) + ", trouble " + x.trouble());
        System.out.println("another text " + tell(x, "regatta water 21") + ", trouble " + x.trouble()
            + ", fault " + x.fault() + " at " + x.where());
        System.out.println("houses still " + x.size(6));
    }
}
