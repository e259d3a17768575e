/** A house with one sill: what is told, what is read, and how a refusal is met. */
public final class ReadASill {
  public static void main(String[] args) {
    DustInOrder house = new DustInOrder();
    int sill = house.sill(3, 0); // HIGH 3, DRAUGHT 0
    house.look(15); // for 1 by 5
    house.look(24); // for 2 by 4
    int uppermost = house.of(sill, 4) - 1;
    System.out.println("uppermost is " + house.layer(sill, uppermost, 0) + ", " + house.layer(sill, uppermost, 1) + " thick");
    System.out.println("1 is not read any more behind a breath of " + house.clear(sill, 1));
    System.out.println("three lookings tell this in " + house.ways(sill, 3) + " ways");

    house.row(0, 0, 2); // SHELF 0 holds a BOOK: a ROW of two bytes
    house.put(0, 0, 39); // for 3 by 9
    house.put(0, 1, 61); // for 1 by as much as he is MISSED
    System.out.println("behind the book 3 lies " + house.laid(0, 2, sill, 21) + " thick under 1");

    for (char letter : "n*2-h".toCharArray()) {
      house.feed(letter);
    }
    System.out.println("THE LAW is taken: " + (house.law() == 1) + ", now 5 lays " + house.lays(sill, 15));

    int third = house.layer(sill, 2, 0);
    System.out.println(third == DustInOrder.NOT ? "no third LAYER lies there" : "third is " + third);
    System.out.println(house.look(66) == DustInOrder.BAD ? "66 is no LOOKING" : "66 was looked for");
  }
}
